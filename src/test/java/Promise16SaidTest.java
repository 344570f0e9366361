/** Promise 16: said. */
public final class Promise16SaidTest {
    public static void main(String[] args) {
        Due due = new Due();
        StoryWorld world = new StoryWorld();
        due.is("said() at first", 0, world.said());
        world.rule(Story.DROP, 0, Story.ALWAYS, Story.say(0));
        for (int i = 1; i <= 100; i++) {
            world.command(Story.DROP, 1, 0);
            due.is("said() where no rule applied", i - 1, world.said());
            world.command(Story.DROP, 0, 0);
            due.is("said()", i, world.said());
        }
        world.rule(Story.DROP, 0, Story.ALWAYS, Story.grow(0, 1));
        world.rule(Story.DROP, 0, Story.ALWAYS, Story.move(0, 1));
        world.rule(Story.DROP, 0, Story.ALWAYS, Story.carry(1));
        world.rule(Story.DROP, 0, Story.ALWAYS, Story.STOPS + Story.say(255));
        world.command(Story.DROP, 0, 0);
        due.is("said() with other effects", 102, world.said());
        manyNumbers(due);
        due.end();
    }

    private static void manyNumbers(Due due) {
        StoryWorld world = new StoryWorld();
        for (int i = 0; i < 16; i++) {
            world.rule(Story.TAKE, -1, Story.ALWAYS, Story.say(i));
        }
        for (int i = 0; i < 490; i++) {
            world.command(Story.TAKE, 0, 0);
        }
        due.is("said()", 490 * 16, world.said());
    }
}
