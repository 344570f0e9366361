/** Promise 12: traits. */
public final class Promise12TraitsTest {
    public static void main(String[] args) {
        Due due = new Due();
        StoryWorld world = new StoryWorld();
        for (int t = 0; t < 8; t++) {
            world.thing(t, 15 - t, t);
        }
        for (int t = 0; t < 8; t++) {
            due.is("traits(" + t + ")", 15 - t, world.traits(t));
        }
        world.thing(0, Story.BOX + Story.LAMP + Story.FIXED, 0);
        world.command(Story.OPEN, 0, 0);
        due.is("traits(0) opened", 15, world.traits(0));
        world.command(Story.CLOSE, 0, 0);
        due.is("traits(0) closed", 11, world.traits(0));
        int[] outside = {-1, 8, 9, 15, 16, 100, Integer.MIN_VALUE, Integer.MAX_VALUE};
        for (int t : outside) {
            due.is("traits(" + t + ")", StoryWorld.BAD, world.traits(t));
        }
        due.end();
    }
}
