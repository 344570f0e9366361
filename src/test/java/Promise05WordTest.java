/** Promise 5: word. */
public final class Promise05WordTest {
    public static void main(String[] args) {
        Due due = new Due();
        everyLetters(due);
        everyMeaning(due);
        roomForWords(due);
        due.end();
    }

    private static boolean isWord(int letters) {
        int a = letters % 27;
        int b = letters / 27 % 27;
        int c = letters / 729 % 27;
        int d = letters / 19683;
        return a != 0 && (b != 0 || c == 0 && d == 0) && (c != 0 || d == 0);
    }

    /** Every number a word can have, and those around, each on an object with room for it. */
    private static void everyLetters(Due due) {
        StoryWorld world = new StoryWorld();
        int words = 0;
        for (int letters = 1; letters <= 531440; letters++) {
            // Nothing is promised of an object after its 512th call.
            if (words == 24 || letters % 500 == 0) {
                world = new StoryWorld();
                words = 0;
            }
            boolean good = isWord(letters);
            words += good ? 1 : 0;
            due.is("word(" + letters + ", 0)", good ? words : StoryWorld.BAD, world.word(letters, 0));
        }
        int[] outside = {0, -1, -26, -27, -28, -531440, 531441, 531442, 531468, 1000000,
            Integer.MIN_VALUE, Integer.MIN_VALUE + 1, Integer.MAX_VALUE};
        world = new StoryWorld();
        for (int letters : outside) {
            due.is("word(" + letters + ", 0)", StoryWorld.BAD, world.word(letters, 0));
        }
        due.is("the first word then", 1, world.word(531440, 0));
    }

    private static void everyMeaning(Due due) {
        for (int meaning = -40; meaning <= 60; meaning++) {
            StoryWorld world = new StoryWorld();
            boolean good = meaning >= 0 && meaning <= 5 || meaning >= 10 && meaning <= 13
                    || meaning >= 20 && meaning <= 27 || meaning == 30;
            due.is("word(1, " + meaning + ")", good ? 1 : StoryWorld.BAD, world.word(1, meaning));
            due.is("enter() then", good ? 0 : 1,
                    Story.enter(world, "a") == StoryWorld.UNKNOWN ? 1 : 0);
        }
        int[] far = {Integer.MIN_VALUE, Integer.MIN_VALUE + 10, Integer.MIN_VALUE + 13, Integer.MAX_VALUE,
            Integer.MIN_VALUE + 20, Integer.MIN_VALUE + 27, 256, 65536, 1 << 30};
        for (int meaning : far) {
            due.is("word(1, " + meaning + ")", StoryWorld.BAD, new StoryWorld().word(1, meaning));
        }
    }

    private static void roomForWords(Due due) {
        StoryWorld world = new StoryWorld();
        for (int i = 1; i <= 24; i++) {
            due.is("word " + i, i, world.word(i, 10));
            due.is("the same again", i, world.word(i, 10));
        }
        due.is("one more", StoryWorld.NO_ROOM, world.word(25, 10));
        due.is("one more", StoryWorld.NO_ROOM, world.word(531440, 30));
        due.is("BAD letters go before NO_ROOM", StoryWorld.BAD, world.word(27, 10));
        due.is("BAD meaning goes before NO_ROOM", StoryWorld.BAD, world.word(25, 6));
        due.is("not taken", StoryWorld.UNKNOWN, Story.enter(world, "y"));
        due.is("a word that is there gets another meaning", 24, world.word(1, 30));
        due.is("the last one too", 24, world.word(24, 0));
        due.is("the first has it", StoryWorld.NOTHING, Story.enter(world, "a"));
        due.is("the last has it", StoryWorld.CONFUSED, Story.enter(world, "x"));
        due.is("another has its old one", StoryWorld.NO_WAY, Story.enter(world, "b"));
        due.is("a bad meaning changes nothing", StoryWorld.BAD, world.word(1, 31));
        due.is("the first has its meaning", StoryWorld.NOTHING, Story.enter(world, "a"));
    }
}
