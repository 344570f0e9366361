/** Promise 17: saying. */
public final class Promise17SayingTest {
    public static void main(String[] args) {
        Due due = new Due();
        everyNumber(due);
        fortyAreKept(due);
        due.end();
    }

    private static void everyNumber(Due due) {
        for (int number = 0; number < 256; number++) {
            StoryWorld world = new StoryWorld();
            int stops = number % 2 == 0 ? Story.STOPS : 0;
            world.rule(Story.OPEN, -1, Story.ALWAYS, Story.code(0, number % 16, number / 16) + stops);
            due.is("saying(0) before", StoryWorld.BAD, world.saying(0));
            world.command(Story.OPEN, 0, 0);
            due.is("saying(0)", number, world.saying(0));
            due.is("saying(1)", StoryWorld.BAD, world.saying(1));
            due.is("saying(-1)", StoryWorld.BAD, world.saying(-1));
        }
    }

    private static void fortyAreKept(Due due) {
        for (int count = 36; count <= 45; count++) {
            StoryWorld world = new StoryWorld();
            for (int i = 0; i < count; i++) {
                world.rule(Story.TAKE, -1, Story.ALWAYS, Story.say(200 - i));
                world.command(Story.TAKE, 0, 0);
                world.unrule();
            }
            due.is("said()", count, world.said());
            for (int k = 0; k < 50; k++) {
                int number = k < count && k < 40 ? 200 - k : StoryWorld.BAD;
                due.is("saying(" + k + ") of " + count, number, world.saying(k));
            }
            int[] outside = {-1, -40, 1000, Integer.MIN_VALUE, Integer.MAX_VALUE};
            for (int k : outside) {
                due.is("saying(" + k + ")", StoryWorld.BAD, world.saying(k));
            }
        }
    }
}
