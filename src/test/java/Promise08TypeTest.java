/** Promise 8: type. */
public final class Promise08TypeTest {
    public static void main(String[] args) {
        Due due = new Due();
        for (int c = -300; c <= 400; c++) {
            boolean good = c >= 97 && c <= 122 || c == 32;
            due.is("type(" + c + ")", good ? 1 : 0, new StoryWorld().type(c) ? 1 : 0);
        }
        int[] far = {Integer.MIN_VALUE, Integer.MAX_VALUE, 65536 + 97, 256 + 97, -97, -32};
        for (int c : far) {
            due.no("type(" + c + ")", new StoryWorld().type(c));
        }
        thirty(due);
        refusedOnesAreNotTyped(due);
        due.end();
    }

    private static void thirty(Due due) {
        StoryWorld world = new StoryWorld();
        world.word(Story.letters("a"), 10);
        world.word(Story.letters("b"), 30);
        for (int i = 0; i < 29; i++) {
            due.yes("blank " + i, world.type(' '));
        }
        due.yes("the letter at the end", world.type('a'));
        due.no("one more letter", world.type('z'));
        due.no("one more blank", world.type(' '));
        due.no("a wrong one more", world.type(0));
        due.is("enter()", StoryWorld.NO_WAY, world.enter());
        due.yes("room again", Story.type(world, "b b b b b b b b b b b b b b b "));
        due.no("but not for 31", world.type('b'));
        due.is("enter() of fifteen words passed over", StoryWorld.NOTHING, world.enter());
        due.yes("thirty of one word", Story.type(world, "abcdefghijklmnopqrstuvwxyzabcd"));
        due.no("and no more", world.type(' '));
        due.is("enter()", StoryWorld.UNKNOWN, world.enter());
    }

    private static void refusedOnesAreNotTyped(Due due) {
        StoryWorld world = new StoryWorld();
        world.word(Story.letters("ab"), 10);
        world.type('a');
        due.no("type('A')", world.type('A'));
        due.no("type('-')", world.type('-'));
        due.no("type(10)", world.type(10));
        world.type('b');
        due.is("enter() of ab", StoryWorld.NO_WAY, world.enter());
    }
}
