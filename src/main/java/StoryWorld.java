/** A small world of rooms and things, with rules and commands that are typed. */
public final class StoryWorld {
    public static final int BAD = -1;
    public static final int NO_ROOM = -2;
    public static final int DONE = 0;
    public static final int STOPPED = 1;
    public static final int UNSEEN = 2;
    public static final int HAVE = 3;
    public static final int HEAVY = 4;
    public static final int FULL = 5;
    public static final int NOT_HELD = 6;
    public static final int NO_BOX = 7;
    public static final int CLOSED = 8;
    public static final int NO_WAY = 9;
    public static final int SAME = 10;
    public static final int UNKNOWN = 11;
    public static final int CONFUSED = 12;
    public static final int NOTHING = 13;

    private static final int ROOMS = 6;
    private static final int DIRECTIONS = 4;
    private static final int EXITS = ROOMS * DIRECTIONS;
    private static final int NO_EXIT = -1;
    private static final int THINGS = 8;
    private static final int COUNTERS = 4;

    private static final int TRAIT_FIXED = 1;
    private static final int TRAIT_BOX = 2;
    private static final int TRAIT_OPEN = 4;
    private static final int TRAIT_LAMP = 8;
    private static final int OPEN_BOX = TRAIT_BOX + TRAIT_OPEN;
    private static final int ALL_TRAITS = 15;
    private static final int TRAIT_KINDS = 4;

    private static final int PLACE_HELD = 6;
    private static final int PLACE_NOWHERE = 7;
    /** Place PLACE_IN_THING + t is in thing t. */
    private static final int PLACE_IN_THING = 8;
    private static final int LAST_PLACE = 15;

    private static final int MOST_HELD = 4;
    private static final int MOST_IN_BOX = 3;

    private static final int VERB_GO = 0;
    private static final int VERB_TAKE = 1;
    private static final int VERB_DROP = 2;
    private static final int VERB_PUT = 3;
    private static final int VERB_OPEN = 4;
    private static final int VERB_CLOSE = 5;

    private static final int MEANING_DIRECTION = 10;
    private static final int MEANING_THING = 20;
    private static final int MEANING_PASSED_OVER = 30;

    private static final int MOST_WORDS = 24;
    private static final int LETTER_BASE = 27;
    private static final int MOST_LETTERS = 531440;
    private static final int WORD_LENGTH = 4;
    private static final int LAST_WEIGHT = LETTER_BASE * LETTER_BASE * LETTER_BASE;
    private static final int WORD_NOT_KNOWN = -1;

    private static final int MOST_TYPED = 30;
    /** A word and a blank take two of the typed characters. */
    private static final int MOST_SENTENCE_WORDS = 15;
    private static final int BLANK = 32;
    private static final int LETTER_A = 97;
    private static final int LETTER_Z = 122;

    private static final int MOST_RULES = 16;
    private static final int ANY_SUBJECT = -1;
    private static final int LAST_CONDITION = 1023;
    private static final int LAST_EFFECT = 2047;
    private static final int STOPS = 1024;

    private static final int IF_ALWAYS = 0;
    private static final int IF_COUNTER = 1;
    private static final int IF_PLACE = 2;

    private static final int TO_SAY = 0;
    private static final int TO_MOVE = 1;
    private static final int TO_COUNT = 2;
    private static final int COUNT_SHIFT = 8;

    private static final int KEPT_SAYINGS = 40;
    private static final int LARGEST_INT = 2147483647;

    private final boolean[] darkRooms = new boolean[ROOMS];
    private final int[] exits = new int[EXITS];
    private final int[] thingTraits = new int[THINGS];
    private final int[] thingPlaces = new int[THINGS];
    private final int[] counters = new int[COUNTERS];
    private int playerRoom = 0;

    private final int[] wordLetters = new int[MOST_WORDS];
    private final int[] wordMeanings = new int[MOST_WORDS];
    private int wordCount = 0;

    private final int[] ruleVerbs = new int[MOST_RULES];
    private final int[] ruleSubjects = new int[MOST_RULES];
    private final int[] ruleConditions = new int[MOST_RULES];
    private final int[] ruleEffects = new int[MOST_RULES];
    private int ruleCount = 0;

    private final int[] typed = new int[MOST_TYPED];
    private int typedCount = 0;
    /** The meanings of what was typed last, without the words passed over. */
    private final int[] sentence = new int[MOST_SENTENCE_WORDS];

    private final int[] sayings = new int[KEPT_SAYINGS];
    private int sayingCount = 0;

    public StoryWorld() {
        for (int i = 0; i < EXITS; i++) {
            exits[i] = NO_EXIT;
        }
        for (int t = 0; t < THINGS; t++) {
            thingPlaces[t] = PLACE_NOWHERE;
        }
    }

    public boolean dark(int room, boolean on) {
        if (!isRoom(room)) {
            return false;
        }
        darkRooms[room] = on;
        return true;
    }

    public boolean link(int room, int direction, int to) {
        if (!isRoom(room) || !isDirection(direction)) {
            return false;
        }
        if (to != NO_EXIT && !isRoom(to)) {
            return false;
        }
        exits[room * DIRECTIONS + direction] = to;
        return true;
    }

    public boolean thing(int t, int traits, int place) {
        if (!isThing(t) || traits < 0 || traits > ALL_TRAITS || place < 0 || place > LAST_PLACE) {
            return false;
        }
        if (isWithin(place, t)) {
            return false;
        }
        thingTraits[t] = traits;
        thingPlaces[t] = place;
        return true;
    }

    public int word(int letters, int meaning) {
        if (!areLetters(letters) || !isMeaning(meaning)) {
            return BAD;
        }
        int at = findWord(letters);
        if (at == wordCount) {
            if (wordCount >= MOST_WORDS) {
                return NO_ROOM;
            }
            wordLetters[at] = letters;
            wordCount++;
        }
        wordMeanings[at] = meaning;
        return wordCount;
    }

    public int rule(int verb, int subject, int condition, int effect) {
        if (ruleCount >= MOST_RULES) {
            return NO_ROOM;
        }
        if (!isVerb(verb) || !isSubject(verb, subject)) {
            return BAD;
        }
        if (!isCondition(condition) || !isEffect(effect)) {
            return BAD;
        }
        ruleVerbs[ruleCount] = verb;
        ruleSubjects[ruleCount] = subject;
        ruleConditions[ruleCount] = condition;
        ruleEffects[ruleCount] = effect;
        ruleCount++;
        return ruleCount;
    }

    public int unrule() {
        if (ruleCount == 0) {
            return BAD;
        }
        ruleCount--;
        return ruleCount;
    }

    public boolean type(int c) {
        boolean isLetter = c >= LETTER_A && c <= LETTER_Z;
        if (!isLetter && c != BLANK) {
            return false;
        }
        if (typedCount >= MOST_TYPED) {
            return false;
        }
        typed[typedCount] = c;
        typedCount++;
        return true;
    }

    public int enter() {
        int count = readSentence();
        typedCount = 0;
        if (count == WORD_NOT_KNOWN) {
            return UNKNOWN;
        }
        if (count == 0) {
            return NOTHING;
        }
        int first = sentence[0];
        int second = sentence[1];
        int third = sentence[2];
        if (count == 1 && meansDirection(first)) {
            return perform(VERB_GO, first - MEANING_DIRECTION, 0);
        }
        if (count == 2 && first == VERB_GO && meansDirection(second)) {
            return perform(VERB_GO, second - MEANING_DIRECTION, 0);
        }
        if (count == 2 && takesOneThing(first) && meansThing(second)) {
            return perform(first, second - MEANING_THING, 0);
        }
        if (count == 3 && first == VERB_PUT && meansThing(second) && meansThing(third)) {
            return perform(VERB_PUT, second - MEANING_THING, third - MEANING_THING);
        }
        return CONFUSED;
    }

    public int command(int verb, int x, int y) {
        if (!isVerb(verb)) {
            return BAD;
        }
        boolean xFits = verb == VERB_GO ? isDirection(x) : isThing(x);
        if (!xFits) {
            return BAD;
        }
        if (verb == VERB_PUT && !isThing(y)) {
            return BAD;
        }
        return perform(verb, x, y);
    }

    public int place(int t) {
        return isThing(t) ? thingPlaces[t] : BAD;
    }

    public int traits(int t) {
        return isThing(t) ? thingTraits[t] : BAD;
    }

    public int player() {
        return playerRoom;
    }

    public int counter(int k) {
        return isCounter(k) ? counters[k] : 0;
    }

    public boolean visible(int t) {
        return isThing(t) && canSee(t);
    }

    public int said() {
        return sayingCount;
    }

    public int saying(int k) {
        if (k < 0 || k >= KEPT_SAYINGS || k >= sayingCount) {
            return BAD;
        }
        return sayings[k];
    }

    private static boolean isRoom(int n) {
        return n >= 0 && n < ROOMS;
    }

    private static boolean isDirection(int n) {
        return n >= 0 && n < DIRECTIONS;
    }

    private static boolean isThing(int n) {
        return n >= 0 && n < THINGS;
    }

    private static boolean isCounter(int n) {
        return n >= 0 && n < COUNTERS;
    }

    private static boolean isVerb(int n) {
        return n >= VERB_GO && n <= VERB_CLOSE;
    }

    private static boolean meansDirection(int meaning) {
        return isDirection(meaning - MEANING_DIRECTION);
    }

    private static boolean meansThing(int meaning) {
        return isThing(meaning - MEANING_THING);
    }

    private static boolean isMeaning(int meaning) {
        return isVerb(meaning) || meansDirection(meaning) || meansThing(meaning)
                || meaning == MEANING_PASSED_OVER;
    }

    private static boolean takesOneThing(int meaning) {
        return meaning == VERB_TAKE || meaning == VERB_DROP
                || meaning == VERB_OPEN || meaning == VERB_CLOSE;
    }

    /** Whether the number is a word: a first letter, and no letter behind a missing one. */
    private static boolean areLetters(int letters) {
        if (letters < 1 || letters > MOST_LETTERS) {
            return false;
        }
        int rest = letters;
        for (int i = 0; i < WORD_LENGTH && rest > 0; i++) {
            if (rest % LETTER_BASE == 0) {
                return false;
            }
            rest = rest / LETTER_BASE;
        }
        return true;
    }

    private static boolean isSubject(int verb, int subject) {
        if (subject == ANY_SUBJECT) {
            return true;
        }
        return verb == VERB_GO ? isDirection(subject) : isThing(subject);
    }

    private static int kindOf(int code) {
        return code & 3;
    }

    private static int firstOf(int code) {
        return (code >> 2) & 15;
    }

    private static int secondOf(int code) {
        return (code >> 6) & 15;
    }

    private static boolean isCondition(int condition) {
        if (condition < 0 || condition > LAST_CONDITION) {
            return false;
        }
        int a = firstOf(condition);
        int b = secondOf(condition);
        switch (kindOf(condition)) {
            case IF_ALWAYS:
                return true;
            case IF_COUNTER:
                return isCounter(a);
            case IF_PLACE:
                return isThing(a);
            default:
                return isThing(a) && b < TRAIT_KINDS;
        }
    }

    private static boolean isEffect(int effect) {
        if (effect < 0 || effect > LAST_EFFECT) {
            return false;
        }
        int a = firstOf(effect);
        switch (kindOf(effect)) {
            case TO_SAY:
                return true;
            case TO_MOVE:
                return isThing(a);
            case TO_COUNT:
                return isCounter(a);
            default:
                return isRoom(a);
        }
    }

    /** The word's index, or wordCount if it has no meaning. */
    private int findWord(int letters) {
        int at = 0;
        while (at < wordCount && wordLetters[at] != letters) {
            at++;
        }
        return at;
    }

    /** Fills the sentence; answers its length, or WORD_NOT_KNOWN if a word has no meaning. */
    private int readSentence() {
        int count = 0;
        int letters = 0;
        int weight = 1;
        for (int i = 0; i <= typedCount; i++) {
            // A blank behind the last character ends the last word like any other.
            int c = i < typedCount ? typed[i] : BLANK;
            if (c != BLANK) {
                letters += (c - LETTER_A + 1) * weight;
                // With weight 0 what stands behind the fourth letter is cut off.
                weight = weight < LAST_WEIGHT ? weight * LETTER_BASE : 0;
            } else if (letters > 0) {
                int at = findWord(letters);
                if (at == wordCount) {
                    return WORD_NOT_KNOWN;
                }
                if (wordMeanings[at] != MEANING_PASSED_OVER && count < MOST_SENTENCE_WORDS) {
                    sentence[count] = wordMeanings[at];
                    count++;
                }
                letters = 0;
                weight = 1;
            }
        }
        return count;
    }

    /** Whether what is in the place is in thing t or inside it. */
    private boolean isWithin(int place, int t) {
        int at = place;
        // No thing is inside itself, so the way out passes each thing once at most.
        for (int i = 0; i < THINGS && at >= PLACE_IN_THING; i++) {
            int holder = at - PLACE_IN_THING;
            if (holder == t) {
                return true;
            }
            at = thingPlaces[holder];
        }
        return false;
    }

    private boolean hasTrait(int t, int trait) {
        return (thingTraits[t] & trait) != 0;
    }

    private boolean isHeld(int t) {
        return thingPlaces[t] == PLACE_HELD;
    }

    private int countIn(int place) {
        int count = 0;
        for (int t = 0; t < THINGS; t++) {
            if (thingPlaces[t] == place) {
                count++;
            }
        }
        return count;
    }

    private boolean isNear(int t) {
        int at = thingPlaces[t];
        // No thing is inside itself, so the way out passes each thing once at most.
        for (int i = 0; i < THINGS && at >= PLACE_IN_THING; i++) {
            int holder = at - PLACE_IN_THING;
            if ((thingTraits[holder] & OPEN_BOX) != OPEN_BOX) {
                return false;
            }
            at = thingPlaces[holder];
        }
        return at == playerRoom || at == PLACE_HELD;
    }

    private boolean canSee(int t) {
        if (!isNear(t)) {
            return false;
        }
        if (!darkRooms[playerRoom]) {
            return true;
        }
        for (int lamp = 0; lamp < THINGS; lamp++) {
            if (hasTrait(lamp, TRAIT_LAMP) && isNear(lamp)) {
                return true;
            }
        }
        return false;
    }

    private int perform(int verb, int x, int y) {
        if (rulesStop(verb, x)) {
            return STOPPED;
        }
        switch (verb) {
            case VERB_GO:
                return performGo(x);
            case VERB_TAKE:
                return performTake(x);
            case VERB_DROP:
                return performDrop(x);
            case VERB_PUT:
                return performPut(x, y);
            case VERB_OPEN:
                return performTurn(x, true);
            default:
                return performTurn(x, false);
        }
    }

    /** Goes through all rules, also behind one that stops; answers whether one stopped. */
    private boolean rulesStop(int verb, int x) {
        boolean stopped = false;
        for (int i = 0; i < ruleCount; i++) {
            boolean meant = ruleSubjects[i] == x || ruleSubjects[i] == ANY_SUBJECT;
            if (ruleVerbs[i] == verb && meant && holds(ruleConditions[i])) {
                takeEffect(ruleEffects[i]);
                stopped = stopped || (ruleEffects[i] & STOPS) != 0;
            }
        }
        return stopped;
    }

    private boolean holds(int condition) {
        int a = firstOf(condition);
        int b = secondOf(condition);
        switch (kindOf(condition)) {
            case IF_ALWAYS:
                return true;
            case IF_COUNTER:
                return counters[a] >= b;
            case IF_PLACE:
                return thingPlaces[a] == b;
            default:
                return hasTrait(a, 1 << b);
        }
    }

    private void takeEffect(int effect) {
        int a = firstOf(effect);
        int b = secondOf(effect);
        switch (kindOf(effect)) {
            case TO_SAY:
                say(a + 16 * b);
                break;
            case TO_MOVE:
                if (!isWithin(b, a)) {
                    thingPlaces[a] = b;
                }
                break;
            case TO_COUNT:
                counters[a] += b - COUNT_SHIFT;
                break;
            default:
                playerRoom = a;
                break;
        }
    }

    private void say(int number) {
        if (sayingCount < KEPT_SAYINGS) {
            sayings[sayingCount] = number;
        }
        // The count stays at the largest int: wrapped around, it would be a bad index.
        if (sayingCount < LARGEST_INT) {
            sayingCount++;
        }
    }

    private int performGo(int direction) {
        int to = exits[playerRoom * DIRECTIONS + direction];
        if (to == NO_EXIT) {
            return NO_WAY;
        }
        playerRoom = to;
        return DONE;
    }

    private int performTake(int x) {
        if (!canSee(x)) {
            return UNSEEN;
        }
        if (isHeld(x)) {
            return HAVE;
        }
        if (hasTrait(x, TRAIT_FIXED)) {
            return HEAVY;
        }
        if (countIn(PLACE_HELD) >= MOST_HELD) {
            return FULL;
        }
        thingPlaces[x] = PLACE_HELD;
        return DONE;
    }

    private int performDrop(int x) {
        if (!isHeld(x)) {
            return NOT_HELD;
        }
        thingPlaces[x] = playerRoom;
        return DONE;
    }

    private int performPut(int x, int y) {
        if (!isHeld(x)) {
            return NOT_HELD;
        }
        if (!canSee(y)) {
            return UNSEEN;
        }
        int placeInY = PLACE_IN_THING + y;
        if (!hasTrait(y, TRAIT_BOX) || isWithin(placeInY, x)) {
            return NO_BOX;
        }
        if (!hasTrait(y, TRAIT_OPEN)) {
            return CLOSED;
        }
        if (countIn(placeInY) >= MOST_IN_BOX) {
            return FULL;
        }
        thingPlaces[x] = placeInY;
        return DONE;
    }

    private int performTurn(int x, boolean open) {
        if (!canSee(x)) {
            return UNSEEN;
        }
        if (!hasTrait(x, TRAIT_BOX)) {
            return NO_BOX;
        }
        if (hasTrait(x, TRAIT_OPEN) == open) {
            return SAME;
        }
        thingTraits[x] ^= TRAIT_OPEN;
        return DONE;
    }
}
