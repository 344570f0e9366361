/** Promise 3: link. */
public final class Promise03LinkTest {
    public static void main(String[] args) {
        Due due = new Due();
        everyExitForItself(due);
        anExitChangesAndGoes(due);
        wrongOnes(due);
        due.end();
    }

    /** Exit (room, direction) leads to a room of its own choice; all 24 are set, then all gone through. */
    private static void everyExitForItself(Due due) {
        for (int room = 0; room < 6; room++) {
            for (int direction = 0; direction < 4; direction++) {
                StoryWorld world = new StoryWorld();
                setAll(due, world);
                world.rule(Story.DROP, 0, Story.ALWAYS, Story.carry(room));
                world.command(Story.DROP, 0, 0);
                due.is("GO " + direction + " from " + room, StoryWorld.DONE,
                        world.command(Story.GO, direction, 0));
                due.is("player()", target(room, direction), world.player());
            }
        }
    }

    private static void setAll(Due due, StoryWorld world) {
        for (int room = 0; room < 6; room++) {
            for (int direction = 0; direction < 4; direction++) {
                int to = target(room, direction);
                due.yes("link(" + room + ", " + direction + ", " + to + ")",
                        world.link(room, direction, to));
            }
        }
    }

    private static int target(int room, int direction) {
        return (room * 5 + direction * 2 + 1) % 6;
    }

    private static void anExitChangesAndGoes(Due due) {
        StoryWorld world = new StoryWorld();
        due.yes("link(0, 3, 5)", world.link(0, 3, 5));
        due.yes("link(0, 3, 0)", world.link(0, 3, 0));
        due.is("GO 3 to the same room", StoryWorld.DONE, world.command(Story.GO, 3, 0));
        due.is("player()", 0, world.player());
        due.yes("link(0, 3, -1)", world.link(0, 3, -1));
        due.is("GO 3 without exit", StoryWorld.NO_WAY, world.command(Story.GO, 3, 0));
        due.yes("link(0, 2, -1), none before", world.link(0, 2, -1));
        due.is("GO 2 without exit", StoryWorld.NO_WAY, world.command(Story.GO, 2, 0));
        world.link(0, 1, 4);
        world.command(Story.GO, 1, 0);
        due.is("exits lead one way", StoryWorld.NO_WAY, world.command(Story.GO, 1, 0));
    }

    private static void wrongOnes(Due due) {
        StoryWorld world = new StoryWorld();
        world.link(0, 0, 1);
        world.link(1, 0, 0);
        int[][] wrong = {
            {-1, 0, 0}, {6, 0, 0}, {0, -1, 0}, {0, 4, 0}, {0, 0, -2}, {0, 0, 6}, {-1, 4, 3}, {1, -4, 3},
            {Integer.MIN_VALUE, 0, 0}, {Integer.MAX_VALUE, 0, 0}, {0, Integer.MIN_VALUE, 0},
            {0, Integer.MAX_VALUE, 0}, {0, 0, Integer.MIN_VALUE}, {0, 0, Integer.MAX_VALUE}};
        for (int[] w : wrong) {
            due.no("link(" + w[0] + ", " + w[1] + ", " + w[2] + ")", world.link(w[0], w[1], w[2]));
            due.is("GO 0", StoryWorld.DONE, world.command(Story.GO, 0, 0));
            due.is("player()", 1, world.player());
            due.is("GO 0", StoryWorld.DONE, world.command(Story.GO, 0, 0));
            due.is("player()", 0, world.player());
        }
    }
}
