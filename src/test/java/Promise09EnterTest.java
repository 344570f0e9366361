/** Promise 9: enter. */
public final class Promise09EnterTest {
    public static void main(String[] args) {
        Due due = new Due();
        commands(due);
        wordsAndBlanks(due);
        orderOfTheAnswers(due);
        everySentence(due);
        nothingIsTypedThen(due);
        due.end();
    }

    private static StoryWorld speaking() {
        StoryWorld world = new StoryWorld();
        String[] verbs = {"go", "take", "drop", "put", "open", "clos"};
        for (int i = 0; i < 6; i++) {
            world.word(Story.letters(verbs[i]), i);
        }
        String[] directions = {"n", "s", "e", "west"};
        for (int i = 0; i < 4; i++) {
            world.word(Story.letters(directions[i]), 10 + i);
        }
        String[] things = {"lamp", "ches", "key", "t", "u", "v", "w", "x"};
        for (int i = 0; i < 8; i++) {
            world.word(Story.letters(things[i]), 20 + i);
        }
        world.word(Story.letters("the"), 30);
        world.word(Story.letters("in"), 30);
        return world;
    }

    private static void commands(Due due) {
        StoryWorld world = speaking();
        world.link(0, 0, 1);
        world.link(1, 3, 2);
        world.thing(0, Story.LAMP, 2);
        world.thing(1, Story.BOX, 2);
        world.thing(7, 0, Story.HELD);
        due.is("n", StoryWorld.DONE, Story.enter(world, "n"));
        due.is("player()", 1, world.player());
        due.is("n", StoryWorld.NO_WAY, Story.enter(world, "n"));
        due.is("go west", StoryWorld.DONE, Story.enter(world, "go west"));
        due.is("player()", 2, world.player());
        due.is("take the lamp", StoryWorld.DONE, Story.enter(world, "take the lamp"));
        due.is("place(0)", Story.HELD, world.place(0));
        due.is("take lamp", StoryWorld.HAVE, Story.enter(world, "take lamp"));
        due.is("put lamp in chest", StoryWorld.CLOSED, Story.enter(world, "put lamp in chest"));
        due.is("open chest", StoryWorld.DONE, Story.enter(world, "open chest"));
        due.is("traits(1)", Story.OPEN_BOX, world.traits(1));
        due.is("put lamp in chest", StoryWorld.DONE, Story.enter(world, "put lamp in chest"));
        due.is("place(0)", Story.in(1), world.place(0));
        due.is("put chest lamp", StoryWorld.NOT_HELD, Story.enter(world, "put chest lamp"));
        due.is("close chest", StoryWorld.DONE, Story.enter(world, "close chest"));
        due.is("traits(1)", Story.BOX, world.traits(1));
        due.is("take lamp", StoryWorld.UNSEEN, Story.enter(world, "take lamp"));
        due.is("drop x", StoryWorld.DONE, Story.enter(world, "drop x"));
        due.is("place(7)", 2, world.place(7));
        due.is("drop x", StoryWorld.NOT_HELD, Story.enter(world, "drop x"));
        world.rule(Story.TAKE, 7, Story.ALWAYS, Story.STOPS + Story.say(77));
        due.is("take x", StoryWorld.STOPPED, Story.enter(world, "take x"));
        due.is("saying(0)", 77, world.saying(0));
        due.is("a direction is GO to the rules", 2, world.rule(Story.GO, 3, 0, Story.STOPS));
        due.is("west", StoryWorld.STOPPED, Story.enter(world, "west"));
    }

    private static void wordsAndBlanks(Due due) {
        StoryWorld world = speaking();
        world.link(0, 3, 0);
        String[] west = {"west", "western", "westwardly", " west", "west ", "   west   ", "go  west",
            "  go    westernmost   ", "the west", "west the", "go the west", "the go in west the",
            "the the the the the the west"};
        for (String text : west) {
            due.is(text, StoryWorld.DONE, Story.enter(world, text));
        }
        String[] unknown = {"wes", "wets", "w est", "wwest", "gone west", "th west", "gowest", "goo west",
            "westgo z", "thee west", "keys", "og west"};
        for (String text : unknown) {
            due.is(text, StoryWorld.UNKNOWN, Story.enter(world, text));
        }
        StoryWorld single = new StoryWorld();
        single.word(Story.letters("zzzz"), 10);
        single.word(Story.letters("zzz"), 30);
        due.is("zzzzz", StoryWorld.NO_WAY, Story.enter(single, "zzzzz"));
        due.is("zzzz", StoryWorld.NO_WAY, Story.enter(single, "zzzz"));
        due.is("zzz", StoryWorld.NOTHING, Story.enter(single, "zzz"));
        due.is("zz", StoryWorld.UNKNOWN, Story.enter(single, "zz"));
    }

    private static void orderOfTheAnswers(Due due) {
        StoryWorld world = speaking();
        due.is("nothing", StoryWorld.NOTHING, world.enter());
        due.is("blanks", StoryWorld.NOTHING, Story.enter(world, "    "));
        due.is("thirty blanks", StoryWorld.NOTHING, Story.enter(world, " ".repeat(30)));
        due.is("the in the", StoryWorld.NOTHING, Story.enter(world, "the in the"));
        due.is("the q the", StoryWorld.UNKNOWN, Story.enter(world, "the q the"));
        due.is("q behind a command", StoryWorld.UNKNOWN, Story.enter(world, "take lamp q"));
        due.is("q before what confuses", StoryWorld.UNKNOWN, Story.enter(world, "q go go"));
        due.is("q behind what confuses", StoryWorld.UNKNOWN, Story.enter(world, "n n n n n n q"));
        due.is("a b c d e", StoryWorld.UNKNOWN, Story.enter(world, "a b c d e"));
        world.rule(Story.GO, -1, Story.ALWAYS, Story.say(1));
        due.is("go n q", StoryWorld.UNKNOWN, Story.enter(world, "go n q"));
        due.is("go n n", StoryWorld.CONFUSED, Story.enter(world, "go n n"));
        due.is("fifteen words", StoryWorld.CONFUSED, Story.enter(world, "n n n n n n n n n n n n n n n"));
        due.is("no rule applied", 0, world.said());
        due.is("go n", StoryWorld.NO_WAY, Story.enter(world, "go n"));
        due.is("a rule applied", 1, world.said());
    }

    /** All sentences of up to three words of each sort; only the shapes of the document are taken. */
    private static void everySentence(Due due) {
        String[] words = {"go", "take", "drop", "put", "open", "clos", "e", "key"};
        String shapes = "/e/go e/take key/drop key/open key/clos key/put key key/";
        for (int n = 1; n < 9 * 9 * 9; n++) {
            StringBuilder text = new StringBuilder();
            for (int rest = n; rest > 0; rest /= 9) {
                if (rest % 9 != 0) {
                    text.append(text.length() == 0 ? "" : " ").append(words[rest % 9 - 1]);
                }
            }
            StoryWorld world = speaking();
            boolean taken = shapes.contains("/" + text + "/");
            int answer = Story.enter(world, text.toString());
            due.is("'" + text + "' confuses", taken ? 0 : 1, answer == StoryWorld.CONFUSED ? 1 : 0);
        }
        StoryWorld world = speaking();
        due.is("put key key key", StoryWorld.CONFUSED, Story.enter(world, "put key key key"));
        due.is("put key key e", StoryWorld.CONFUSED, Story.enter(world, "put key key e"));
    }

    private static void nothingIsTypedThen(Due due) {
        StoryWorld world = speaking();
        String[] texts = {"q", "the", "go go", "n", "take lamp", "put lamp key"};
        for (String text : texts) {
            Story.enter(world, text);
            due.is("enter() after " + text, StoryWorld.NOTHING, world.enter());
        }
        due.is("a word alone after a longer line", StoryWorld.CONFUSED, Story.enter(world, "put"));
        due.is("take after it", StoryWorld.CONFUSED, Story.enter(world, "take"));
        due.is("go after n", StoryWorld.CONFUSED, Story.enter(world, "go"));
    }
}
