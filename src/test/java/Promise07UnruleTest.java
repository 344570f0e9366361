/** Promise 7: unrule. */
public final class Promise07UnruleTest {
    public static void main(String[] args) {
        Due due = new Due();
        StoryWorld world = new StoryWorld();
        due.is("unrule() of none", StoryWorld.BAD, world.unrule());
        due.is("unrule() of none", StoryWorld.BAD, world.unrule());
        due.is("rule", 1, world.rule(Story.DROP, -1, 0, Story.say(1)));
        due.is("rule", 2, world.rule(Story.DROP, -1, 0, Story.say(2)));
        due.is("rule", 3, world.rule(Story.DROP, -1, 0, Story.say(3) + Story.STOPS));
        due.is("DROP with three", StoryWorld.STOPPED, world.command(Story.DROP, 0, 0));
        due.is("unrule()", 2, world.unrule());
        due.is("DROP with two", StoryWorld.NOT_HELD, world.command(Story.DROP, 0, 0));
        due.is("said()", 5, world.said());
        due.is("saying(3)", 1, world.saying(3));
        due.is("saying(4)", 2, world.saying(4));
        due.is("rule in its stead", 3, world.rule(Story.DROP, 0, 0, Story.say(9)));
        due.is("DROP", StoryWorld.NOT_HELD, world.command(Story.DROP, 0, 0));
        due.is("saying(7)", 9, world.saying(7));
        due.is("unrule()", 2, world.unrule());
        due.is("unrule()", 1, world.unrule());
        due.is("unrule()", 0, world.unrule());
        due.is("unrule() of none", StoryWorld.BAD, world.unrule());
        due.is("DROP without rules", StoryWorld.NOT_HELD, world.command(Story.DROP, 0, 0));
        due.is("said()", 8, world.said());
        sixteen(due);
        due.end();
    }

    private static void sixteen(Due due) {
        StoryWorld world = new StoryWorld();
        for (int i = 1; i <= 16; i++) {
            world.rule(Story.TAKE, -1, 0, 0);
        }
        due.is("unrule() of 16", 15, world.unrule());
        due.is("room for one again", 16, world.rule(Story.TAKE, -1, 0, 0));
        due.is("and for no more", StoryWorld.NO_ROOM, world.rule(Story.TAKE, -1, 0, 0));
        for (int left = 15; left >= 0; left--) {
            due.is("unrule()", left, world.unrule());
        }
        due.is("unrule() of none", StoryWorld.BAD, world.unrule());
    }
}
