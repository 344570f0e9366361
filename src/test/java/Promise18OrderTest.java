/** Promise 18: refused calls change nothing; all rules are gone through, and what they did stays. */
public final class Promise18OrderTest {
    public static void main(String[] args) {
        Due due = new Due();
        rulesBehindOneThatStops(due);
        stoppedLeavesTheVerbUndone(due);
        refusedCommandsAreNoCommands(due);
        refusedCallsChangeNothing(due);
        due.end();
    }

    private static void rulesBehindOneThatStops(Due due) {
        for (int stopper = 0; stopper < 16; stopper++) {
            StoryWorld world = new StoryWorld();
            world.thing(0, 0, 0);
            for (int i = 0; i < 16; i++) {
                int stops = i == stopper ? Story.STOPS : 0;
                world.rule(Story.TAKE, i % 2 == 0 ? -1 : 0, Story.ALWAYS, Story.say(i + 1) + stops);
            }
            due.is("TAKE, rule " + stopper + " stops", StoryWorld.STOPPED, world.command(Story.TAKE, 0, 0));
            due.is("said()", 16, world.said());
            for (int i = 0; i < 16; i++) {
                due.is("saying(" + i + ")", i + 1, world.saying(i));
            }
            due.is("place(0)", 0, world.place(0));
        }
        StoryWorld world = new StoryWorld();
        world.rule(Story.GO, 0, Story.ALWAYS, Story.STOPS + Story.carry(2));
        world.rule(Story.GO, 0, Story.ALWAYS, Story.grow(1, 4));
        world.rule(Story.GO, 0, Story.ifCounter(1, 4), Story.STOPS + Story.move(5, 3));
        world.rule(Story.GO, 0, Story.ifCounter(1, 5), Story.STOPS + Story.move(5, 4));
        due.is("GO, two stop", StoryWorld.STOPPED, world.command(Story.GO, 0, 0));
        due.is("player()", 2, world.player());
        due.is("counter(1)", 4, world.counter(1));
        due.is("place(5)", 3, world.place(5));
        world.unrule();
        world.unrule();
        world.unrule();
        world.unrule();
        world.rule(Story.GO, 0, Story.ifCounter(1, 5), Story.STOPS);
        due.is("one that does not apply does not stop", StoryWorld.NO_WAY, world.command(Story.GO, 0, 0));
    }

    private static void stoppedLeavesTheVerbUndone(Due due) {
        StoryWorld world = new StoryWorld();
        for (int verb = 0; verb < 6; verb++) {
            world.rule(verb, -1, Story.ALWAYS, Story.STOPS);
        }
        world.link(0, 0, 1);
        world.thing(0, 0, 0);
        world.thing(1, 0, Story.HELD);
        world.thing(2, Story.BOX, 0);
        world.thing(3, Story.OPEN_BOX, 0);
        int[][] commands = {{Story.GO, 0, 0}, {Story.TAKE, 0, 0}, {Story.DROP, 1, 0}, {Story.PUT, 1, 3},
            {Story.OPEN, 2, 0}, {Story.CLOSE, 3, 0}};
        for (int[] c : commands) {
            due.is("command " + c[0], StoryWorld.STOPPED, world.command(c[0], c[1], c[2]));
        }
        due.is("player()", 0, world.player());
        due.is("place(0)", 0, world.place(0));
        due.is("place(1)", Story.HELD, world.place(1));
        due.is("traits(2)", Story.BOX, world.traits(2));
        due.is("traits(3)", Story.OPEN_BOX, world.traits(3));
        for (int i = 0; i < 6; i++) {
            world.unrule();
        }
        for (int[] c : commands) {
            if (c[0] != Story.GO && c[0] != Story.PUT) {
                due.is("command " + c[0] + " without rules", StoryWorld.DONE, world.command(c[0], c[1], c[2]));
            }
        }
    }

    private static void refusedCommandsAreNoCommands(Due due) {
        StoryWorld world = new StoryWorld();
        for (int verb = 0; verb < 6; verb++) {
            world.rule(verb, -1, Story.ALWAYS, Story.say(verb));
            world.rule(verb, -1, Story.ALWAYS, Story.grow(0, 1));
        }
        int[][] wrong = {{-1, 0, 0}, {6, 0, 0}, {Story.GO, -1, 0}, {Story.GO, 4, 0}, {Story.TAKE, -1, 0},
            {Story.TAKE, 8, 0}, {Story.DROP, 8, 0}, {Story.PUT, 8, 0}, {Story.PUT, 0, 8}, {Story.PUT, 0, -1},
            {Story.OPEN, 8, 0}, {Story.CLOSE, -1, 0}};
        for (int[] w : wrong) {
            due.is("command(" + w[0] + ", " + w[1] + ", " + w[2] + ")", StoryWorld.BAD,
                    world.command(w[0], w[1], w[2]));
            due.is("said()", 0, world.said());
            due.is("counter(0)", 0, world.counter(0));
        }
        due.is("a command that can't be done has its rules", StoryWorld.NOT_HELD,
                world.command(Story.PUT, 0, 1));
        due.is("said()", 1, world.said());
    }

    /** One of each refused call, with what has been typed kept over all of them. */
    private static void refusedCallsChangeNothing(Due due) {
        StoryWorld world = new StoryWorld();
        world.word(Story.letters("go"), 0);
        world.word(Story.letters("n"), 10);
        world.link(0, 0, 3);
        world.thing(0, Story.FIXED, 3);
        world.dark(0, true);
        world.rule(Story.GO, 0, Story.ALWAYS, Story.say(8));
        Story.type(world, "go ");
        due.no("dark", world.dark(6, false));
        due.no("link", world.link(0, 0, 6));
        due.no("link", world.link(6, 0, 1));
        due.no("thing, wrong traits", world.thing(0, 16, 0));
        due.no("thing, wrong place", world.thing(0, 0, 16));
        due.no("thing, inside itself", world.thing(0, 0, 8));
        due.is("word, wrong meaning", StoryWorld.BAD, world.word(Story.letters("n"), 14));
        due.is("word, wrong letters", StoryWorld.BAD, world.word(0, 10));
        due.is("rule", StoryWorld.BAD, world.rule(Story.GO, 4, 0, Story.say(9)));
        due.no("type", world.type('N'));
        due.is("command", StoryWorld.BAD, world.command(Story.GO, 4, 0));
        due.is("place", StoryWorld.BAD, world.place(8));
        due.is("traits", StoryWorld.BAD, world.traits(8));
        due.is("saying", StoryWorld.BAD, world.saying(0));
        due.is("counter", 0, world.counter(4));
        due.no("visible", world.visible(8));
        due.is("traits(0)", Story.FIXED, world.traits(0));
        due.is("place(0)", 3, world.place(0));
        due.is("go n", StoryWorld.DONE, Story.enter(world, "n"));
        due.is("player()", 3, world.player());
        due.is("said()", 1, world.said());
        due.is("saying(0)", 8, world.saying(0));
        due.is("a third word", 3, world.word(Story.letters("s"), 11));
        due.is("a second rule", 2, world.rule(Story.GO, 0, 0, 0));
    }
}
