/** Promise 2: dark. */
public final class Promise02DarkTest {
    public static void main(String[] args) {
        Due due = new Due();
        for (int room = 0; room < 6; room++) {
            eachRoomForItself(due, room);
        }
        int[] outside = {-1, 6, 7, 100, Integer.MIN_VALUE, Integer.MAX_VALUE};
        StoryWorld world = new StoryWorld();
        world.thing(0, 0, 0);
        for (int room : outside) {
            due.no("dark(" + room + ", true)", world.dark(room, true));
            due.no("dark(" + room + ", false)", world.dark(room, false));
            due.yes("visible(0)", world.visible(0));
        }
        world.dark(0, true);
        for (int room : outside) {
            due.no("dark(" + room + ", false)", world.dark(room, false));
            due.no("visible(0)", world.visible(0));
        }
        due.end();
    }

    private static void eachRoomForItself(Due due, int room) {
        StoryWorld world = new StoryWorld();
        due.yes("dark(" + room + ", true)", world.dark(room, true));
        due.yes("dark again", world.dark(room, true));
        for (int other = 0; other < 6; other++) {
            goTo(world, other);
            world.thing(0, 0, other);
            due.is("visible in " + other + " where " + room + " is dark", other == room ? 0 : 1,
                    world.visible(0) ? 1 : 0);
        }
        due.yes("dark(" + room + ", false)", world.dark(room, false));
        goTo(world, room);
        world.thing(0, 0, room);
        due.yes("visible where it is not dark any more", world.visible(0));
    }

    private static void goTo(StoryWorld world, int room) {
        world.link(world.player(), 0, room);
        world.command(Story.GO, 0, 0);
    }
}
