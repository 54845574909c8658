/** Boundary cases of 'Terms, topics and filters' and of promise 21: a test for each sentence. */
public final class TextBoundariesTest {
    private static final String LETTERS = "abcdefghijklmnopqrstuvwxyz0123456789$/";

    public static void main(String[] args) {
        textsHaveOneToEightCharacters();
        zerosAreLeftOutWhereverTheyStand();
        everyCharacterAlone();
        everyCharacterAtEveryPlaceOfEight();
        levelsMayBeEmpty();
        plusIsALevelAlone();
        hashIsTheLastLevelAlone();
        topicsHaveNoJokers();
        theSameLevelByLevel();
        plusStandsForAnyOneLevel();
        hashStandsForNoLevelToo();
        hashStandsForAnyNumberOfLevels();
        jokersAtTheBeginningSpareDollar();
        dollarElsewhereIsNothingSpecial();
        theBrokerSparesDollarToo();
        noFilterOrNoTopicMatchesNothing();
        Check.finish();
    }

    /** Every call that takes a topic takes this text, or none does; 0 is told apart by the caller, for will. */
    private static void topic(String what, long text, boolean want) {
        MessageHub hub = new MessageHub();
        Check.due(what + ": publish", hub.publish(0, text, 1, 1, false), want);
        Check.due(what + ": publish stores", hub.store(0), want ? 1 : 0);
        Check.due(what + ": matches itself", hub.matches(text, text), want);
        if (text != 0) {
            Check.due(what + ": will", hub.will(0, text, 1), want);
        }
    }

    /** Every call that takes a filter takes this text, or none does. */
    private static void filter(String what, long text, boolean want) {
        MessageHub hub = new MessageHub();
        Check.join(hub, 0, 9, 1);
        Check.due(what + ": subscribe", hub.subscribe(0, text, 1, false), want);
        Check.due(what + ": unsubscribe", hub.unsubscribe(0, text), want);
        Check.due(what + ": sent", hub.line(0, Check.UP), want ? 2 : 0);
    }

    private static void topics(boolean want, String... texts) {
        for (String text : texts) {
            topic("topic '" + text + "'", Check.text(text), want);
        }
    }

    private static void filters(boolean want, String... texts) {
        for (String text : texts) {
            filter("filter '" + text + "'", Check.text(text), want);
        }
    }

    private static void match(String filter, String topic, boolean want) {
        boolean got = new MessageHub().matches(Check.text(filter), Check.text(topic));
        Check.due("'" + filter + "' matches '" + topic + "'", got, want);
    }

    /** 'texts of 1 .. 8 characters' */
    private static void textsHaveOneToEightCharacters() {
        topic("no character", 0, false);
        filter("no character", 0, false);
        for (int length = 1; length <= 8; length++) {
            topics(true, "abcdefgh".substring(0, length));
            filters(true, "abcdefgh".substring(0, length));
        }
        filters(true, "+", "#", "+/+/+/+", "+/+/+/#", "abcdef/#", "abcdef/+");
        MessageHub hub = new MessageHub();
        Check.due("no filter matches no text", hub.matches(Check.text("#"), 0), false);
        Check.due("no text matches a topic", hub.matches(0, Check.text("a")), false);
        match("abcdefgh", "abcdefgh", true);
        match("abcdefgh", "abcdefg", false);
        match("abcdefg", "abcdefgh", false);
        match("bcdefgh", "abcdefgh", false);
    }

    /** 'its bytes from the highest to the lowest, zeros left out' */
    private static void zerosAreLeftOutWhereverTheyStand() {
        long plain = 0x612F62L;
        long[] others = {0x612F620000000000L, 0x61002F0062000000L, 0x6100000000002F62L, 0x61002F0000000062L};
        MessageHub hub = new MessageHub();
        Check.join(hub, 0, 9, 3);
        Scene.hand(hub, 0, "a/b", 7, 1, true);
        Check.due("subscribe", hub.subscribe(0, plain, 1, false), true);
        for (long other : others) {
            topic("zeros in a topic", other, true);
            filter("zeros in a filter", other, true);
            Check.due("the same topic", hub.matches(plain, other), true);
            Check.due("the same filter", hub.matches(other, plain), true);
            Check.due("the same retained", hub.retained(other), 7);
            hub.subscribe(0, other, 1, false);
        }
        for (int n = 0; n < 5; n++) {
            Scene.carry(hub, 0, Check.UP, Check.SUBSCRIBE);
        }
        Check.due("the same subscription", hub.session(0) % 8, 1);
        Check.due("another order is another topic", hub.matches(plain, 0x622F61L), false);
        topic("zeros between do not mend a wrong character", 0x6100410000000062L, false);
    }

    /** 'each a .. z, 0 .. 9, $ or /', for texts of one character; a filter may be + or # too */
    private static void everyCharacterAlone() {
        for (int letter = 1; letter < 256; letter++) {
            boolean plain = LETTERS.indexOf(letter) >= 0;
            topic("the topic of character " + letter, letter, plain);
            filter("the filter of character " + letter, letter, plain || letter == '+' || letter == '#');
        }
    }

    /** 'each a .. z, 0 .. 9, $ or /', for each of eight characters */
    private static void everyCharacterAtEveryPlaceOfEight() {
        long base = Check.text("aaaaaaaa");
        for (int shift = 0; shift < 64; shift += 8) {
            for (long letter = 1; letter < 256; letter++) {
                long text = base & ~(255L << shift) | letter << shift;
                boolean plain = LETTERS.indexOf((int) letter) >= 0;
                topic("character " + letter + " in a topic, shift " + shift, text, plain);
                filter("character " + letter + " in a filter, shift " + shift, text, plain);
            }
        }
    }

    /** 'The / part it into LEVELS (some may be empty).' */
    private static void levelsMayBeEmpty() {
        topics(true, "/", "//", "////////", "/a", "a/", "a//a", "/a/", "//a", "a//");
        filters(true, "/", "//", "////////", "/+", "+/", "+//+", "//#", "/#", "a//+");
        match("/", "/", true);
        match("/", "//", false);
        match("////////", "////////", true);
        match("///////", "////////", false);
        match("a//b", "a//b", true);
        match("a//b", "a/b", false);
        match("a/b", "a//b", false);
        match("a", "a/", false);
        match("a/", "a", false);
        match("/a", "a", false);
        match("a", "/a", false);
    }

    /** 'a level may also be + alone', 'no + or # elsewhere' */
    private static void plusIsALevelAlone() {
        filters(true, "+", "+/a", "a/+", "a/+/a", "+/+", "/+", "+/", "/+/", "+/+/+/+", "a/b/c/+", "$/+");
        filters(false, "a+", "+a", "a/a+", "a/+a", "a+/a", "+a/a", "++", "+/++", "$+", "+$", "+0", "0+", "abcdefg+", "+abcdefg");
    }

    /** 'and the last level # alone (no + or # elsewhere)' */
    private static void hashIsTheLastLevelAlone() {
        filters(true, "#", "/#", "a/#", "+/#", "a/+/#", "//#", "$/#", "abcdef/#");
        filters(false, "a#", "#a", "#/", "#/a", "/#/", "a/#/", "a/#/b", "#/#", "##", "/##", "+#", "#+", "a/b#", "a/#b",
            "abcdefg#", "#abcdefg", "#/+", "$#");
    }

    /** A topic is without + and #, where a filter could have them too. */
    private static void topicsHaveNoJokers() {
        topics(false, "+", "#", "a/+", "a/#", "+/a", "/+", "/#", "a/+/a", "a+", "a#");
    }

    /** 'when, level by level, they are the same' */
    private static void theSameLevelByLevel() {
        match("a/b/c", "a/b/c", true);
        match("a/b/c", "a/b/d", false);
        match("a/b/c", "a/b", false);
        match("a/b", "a/b/c", false);
        match("a/b", "a/bc", false);
        match("a/bc", "a/b", false);
        match("ab", "a/b", false);
        match("a/b", "ab", false);
        match("a/b", "b/a", false);
    }

    /** '+ standing for any one level', an empty one too, never for none or two */
    private static void plusStandsForAnyOneLevel() {
        match("+", "a", true);
        match("+", "abcdefgh", true);
        match("+", "a/b", false);
        match("+", "/", false);
        match("+/+", "/", true);
        match("+/", "/", true);
        match("/+", "/", true);
        match("/+", "/a", true);
        match("a/+", "a/", true);
        match("a/+", "a", false);
        match("a/+", "a/b", true);
        match("a/+", "a/b/c", false);
        match("a/+/c", "a//c", true);
        match("a/+/c", "a/c", false);
        match("a/+/c", "a/bb/c", true);
        match("+/+/+/+", "///", true);
        match("+/+/+/+", "//", false);
        match("+/+/+/+", "////", false);
        match("+/+/+/+", "a/b/c/dd", true);
        match("+/+/+/d", "a/b/c/dd", false);
        match("+/+/+/dd", "a/b/c/dd", true);
        match("+/+/+/+", "a/b/c/d/", false);
        match("+/+/+/#", "a/b/c/dd", true);
    }

    /** '# for any number of levels, none too (so a/# matches a)' */
    private static void hashStandsForNoLevelToo() {
        match("a/#", "a", true);
        match("a/b/#", "a/b", true);
        match("a/b/#", "a", false);
        match("+/#", "a", true);
        match("a/+/#", "a/b", true);
        match("a/+/#", "a", false);
        match("a//#", "a/", true);
        match("a//#", "a", false);
        match("abcdef/#", "abcdef", true);
        match("abcdef/#", "abcdefg", false);
        match("a/#", "ab", false);
        match("ab/#", "a", false);
        match("a/#", "b", false);
    }

    /** '# for any number of levels': one, several, empty ones */
    private static void hashStandsForAnyNumberOfLevels() {
        match("#", "a", true);
        match("#", "/", true);
        match("#", "////////", true);
        match("#", "a/b/c/d", true);
        match("a/#", "a/", true);
        match("a/#", "a/b", true);
        match("a/#", "a/b/c/d", true);
        match("a/#", "a///////", true);
        match("a/#", "b/a", false);
        match("/#", "/", true);
        match("/#", "/a/b", true);
        match("/#", "a", false);
        match("+/#", "//", true);
    }

    /** 'a filter that begins with + or # matches no topic that begins with $' */
    private static void jokersAtTheBeginningSpareDollar() {
        match("#", "$", false);
        match("#", "$a", false);
        match("#", "$/a", false);
        match("#", "$abcdefg", false);
        match("+", "$", false);
        match("+", "$a", false);
        match("+/a", "$/a", false);
        match("+/a", "$a/a", false);
        match("+/+", "$a/b", false);
        match("+/#", "$a", false);
        match("+/#", "$a/b", false);
    }

    /** The same sentence from its other side: another beginning of the filter, or the $ elsewhere in the topic. */
    private static void dollarElsewhereIsNothingSpecial() {
        match("$", "$", true);
        match("$a", "$a", true);
        match("$a", "$b", false);
        match("$/#", "$", true);
        match("$a/#", "$a", true);
        match("$a/+", "$a/b", true);
        match("$/+/#", "$/a/b", true);
        match("#", "a$", true);
        match("#", "/$", true);
        match("+", "a$", true);
        match("/+", "/$a", true);
        match("a/#", "a/$b", true);
        match("a/+", "a/$", true);
        match("+/$a", "b/$a", true);
        match("+/+", "/$", true);
    }

    /** The same sentence where the broker matches: copies, and what is retained for a new subscription. */
    private static void theBrokerSparesDollarToo() {
        MessageHub hub = new MessageHub();
        Check.join(hub, 0, 9, 1);
        Check.join(hub, 1, 9, 3);
        Check.enter(hub, 1, "#", 1, false);
        Scene.hand(hub, 0, "$a", 5, 1, true);
        Check.due("no copy for #", hub.line(1, Check.DOWN), 0);
        Scene.hand(hub, 0, "a$", 6, 1, true);
        Check.line("a copy for #", hub, 1, Check.DOWN, Check.publication(6, 1, 1));
        Check.settle(hub);
        Check.due("subscribe", hub.subscribe(1, Check.text("+"), 0, false), true);
        Scene.carry(hub, 1, Check.UP, Check.SUBSCRIBE);
        Check.line("of two retained, one for +", hub, 1, Check.DOWN,
            Check.plain(Check.SUBACK, 0, 0), Check.publication(6, 0, 0) + Check.MARK);
        Check.settle(hub);
        Check.due("subscribe", hub.subscribe(1, Check.text("$a/#"), 0, false), true);
        Scene.carry(hub, 1, Check.UP, Check.SUBSCRIBE);
        Check.line("the other for $a/#", hub, 1, Check.DOWN,
            Check.plain(Check.SUBACK, 0, 0), Check.publication(5, 0, 0) + Check.MARK);
    }

    /** Promise 21: 'false too when one is no filter or no topic' */
    private static void noFilterOrNoTopicMatchesNothing() {
        for (String wrong : new String[] {"", "A", "a b", "\u00e1", "`", "{", ":", "%", ".", "\u0001", "\u0080", "\u00ff"}) {
            match(wrong, wrong, false);
            match("#", wrong, false);
            match("+", wrong, false);
            match(wrong, "a", false);
        }
        for (String noFilter : new String[] {"a#", "#a", "#/a", "a+", "+a", "++", "##", "#/", "+#", "a/#/a"}) {
            match(noFilter, "a", false);
            match(noFilter, "a/a", false);
            match(noFilter, "aa", false);
        }
        for (String noTopic : new String[] {"+", "#", "a/+", "a/#"}) {
            match(noTopic, noTopic, false);
            match("#", noTopic, false);
        }
        MessageHub hub = new MessageHub();
        for (long odd : new long[] {-1, Long.MIN_VALUE, Long.MAX_VALUE, Long.MIN_VALUE + 'a'}) {
            Check.due("an odd long", hub.matches(odd, odd), false);
            Check.due("an odd long as topic", hub.matches('#', odd), false);
            Check.due("an odd long as filter", hub.matches(odd, 'a'), false);
        }
    }
}
