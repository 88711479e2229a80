/** Promises 47 to 51: the best hits, blocks and the cache. */
public final class FindPromises {
    public static void main(String[] args) {
        find();
        hits();
        ranks();
        blocks();
        bounds();
        asideBounds();
        cache();
        cacheOrder();
        Check.end();
    }

    static void find() {
        SearchMill mill = new SearchMill();
        Check.fails("47: no snapshot", Check.INDEX, () -> mill.find(0, 0, 1));
        mill.look(true);
        Check.fails("47: no query", Check.INDEX, () -> mill.find(0, 0, 1));
        Check.termQuery(mill, 0, "a");
        Check.due("47: an empty snapshot", mill.find(0, 0, 1), 0);
        Check.fails("47: most 0", Check.ARGUMENT, () -> mill.find(0, 0, 0));
        Check.fails("47: most 21", Check.ARGUMENT, () -> mill.find(0, 0, 21));
        Check.fails("47: snapshot and most", Check.INDEX, () -> mill.find(1, 0, 0));
        Check.fails("47: query and most", Check.INDEX, () -> mill.find(0, 1, 21));
        Check.fails("47: query -1", Check.INDEX, () -> mill.find(0, -1, 1));
        for (int i = 0; i < 24; i++) {
            Check.added(mill, i, "a");
            if (i % 8 == 7) {
                mill.flush();
            }
        }
        mill.delete(3);
        mill.look(true);
        Check.due("47: one", mill.find(1, 0, 1), 1);
        Check.due("47: twenty at most", mill.find(1, 0, 20), 20);
        Check.due("47: of the same rank the ones that come earlier", mill.hitAt(19), 20);
        Check.due("47: the deleted one is left out", mill.hitAt(3), 4);
        mill.shut(1);
        Check.due("48: the hits stay when the snapshot is shut", mill.hitAt(0), 0);
    }

    static void hits() {
        SearchMill mill = new SearchMill();
        Check.added(mill, 5, "a", "b");
        Check.added(mill, 6, "a a", "");
        Check.added(mill, 7, "a a a", "b b");
        mill.flush();
        mill.look(true);
        Check.termQuery(mill, 0, "a");
        Check.fails("48: nothing was found yet", Check.INDEX, () -> mill.hitAt(0));
        Check.fails("49: nothing was found yet", Check.INDEX, () -> mill.rankAt(0));
        Check.due("47: three", mill.find(0, 0, 5), 3);
        Check.due("48: the best", mill.hitAt(0), 7);
        Check.due("48: the second", mill.hitAt(1), 6);
        Check.due("48: the worst", mill.hitAt(2), 5);
        Check.due("49: 3 times 48", mill.rankAt(0), 144);
        Check.due("49: 3 times 42", mill.rankAt(1), 126);
        Check.due("49: 3 times 32", mill.rankAt(2), 96);
        Check.fails("48: not so many", Check.INDEX, () -> mill.hitAt(3));
        Check.fails("48: -1", Check.INDEX, () -> mill.hitAt(-1));
        Check.fails("49: not so many", Check.INDEX, () -> mill.rankAt(3));
        Check.fails("49: -1", Check.INDEX, () -> mill.rankAt(-1));
        Check.fails("47: wrong", Check.ARGUMENT, () -> mill.find(0, 0, 0));
        Check.due("48: a find that throws changes nothing", mill.hitAt(2), 5);
        Check.due("47: the best two", mill.find(0, 0, 2), 2);
        Check.due("48: the best of two", mill.hitAt(0), 7);
        Check.due("48: the second of two", mill.hitAt(1), 6);
        Check.fails("48: no third", Check.INDEX, () -> mill.hitAt(2));
    }

    static void ranks() {
        SearchMill mill = new SearchMill();
        Check.added(mill, 0, "rare a b", "a");
        for (int i = 1; i < 7; i++) {
            Check.added(mill, i, "a x b");
        }
        mill.flush();
        mill.look(true);
        // N is 7: "rare" has 8 / 2 = 4, which is halved twice; "a" and "b" have 8 / 8.
        Check.termQuery(mill, 0, "rare");
        Check.due("52: the rarity 3", mill.rankByScan(0, 0, 0), 3 * 32 * 3);
        Check.typed(mill, "rare a rare").phrase(0, 20);
        mill.query();
        Check.due("52: no such phrase", mill.rankByScan(0, 1, 0), SearchMill.NONE);
        Check.typed(mill, "rare a").phrase(0, 0);
        mill.query();
        Check.due("52: rarities together", mill.rankByScan(0, 2, 0), 3 * 32 * 4);
        Check.typed(mill, "b rare").near(0, 5, false);
        mill.query();
        Check.due("52: NEAR with both rarities", mill.rankByScan(0, 3, 0), 3 * 32 * 4);
        Check.typed(mill, "r*").wild(0);
        mill.query();
        Check.due("52: of others 32", mill.rankByScan(0, 4, 0), 3 * 32);
        Check.termQuery(mill, 1, "a");
        Check.due("52: the other field, 8 / 2", mill.rankByScan(0, 5, 0), 32 * 3);
        for (int q = 0; q < 6; q++) {
            mill.find(0, q, 1);
            int query = q;
            if (q == 1) {
                Check.fails("49: no hit", Check.INDEX, () -> mill.rankAt(0));
            } else {
                Check.due("49: the same rank, query " + q, mill.rankAt(0), mill.rankByScan(0, query, 0));
            }
        }
        for (int i = 1; i < 7; i++) {
            mill.delete(i);
        }
        mill.look(true);
        Check.due("52: rarities are of live documents", mill.rankByScan(1, 0, 0), 3 * 32);
        Check.due("52: the old snapshot keeps them", mill.rankByScan(0, 0, 0), 3 * 32 * 3);
        SearchMill third = new SearchMill();
        for (int i = 0; i < 8; i++) {
            Check.added(third, i, i < 2 ? "z" : "y");
        }
        third.flush();
        third.delete(1);
        third.look(true);
        Check.termQuery(third, 0, "z");
        third.find(0, 0, 1);
        Check.due("49: rarities are of live documents, 8 / 2", third.rankAt(0), 3 * 32 * 3);
        Check.due("52: as told from texts", third.rankByScan(0, 0, 0), 3 * 32 * 3);
        SearchMill other = new SearchMill();
        Check.added(other, 0, "a a b a b");
        other.flush();
        other.look(true);
        Check.typed(other, "a b").phrase(0, 0);
        other.query();
        Check.due("52: two of three places count", other.rankByScan(0, 0, 0), 3 * 42 * 2);
        Check.typed(other, "a a").phrase(0, 0);
        other.query();
        Check.due("52: each token of the pad counted", other.rankByScan(0, 1, 0), 3 * 32 * 2);
        Check.typed(other, "a b").near(0, 1, false);
        other.query();
        Check.due("52: places 1 and 3 of a", other.rankByScan(0, 2, 0), 3 * 42 * 2);
        Check.typed(other, "?").wild(0);
        Check.typed(other, "a").term(0);
        Check.typed(other, "z").prefix(0);
        other.least(3, 2);
        Check.typed(other, "b").fuzzy(0, 1);
        other.least(2, 2);
        other.query();
        Check.due("52: what all parts that match give, together", other.rankByScan(0, 3, 0), 3 * (32 + 48 + 32));
        other.find(0, 3, 1);
        Check.due("49: the same", other.rankAt(0), 3 * (32 + 48 + 32));
        Check.typed(other, "a").term(0);
        Check.typed(other, "z").term(0);
        other.but();
        other.query();
        Check.due("52: BUT gives what its first part gives", other.rankByScan(0, 4, 0), 3 * 48);
    }

    static void blocks() {
        SearchMill mill = new SearchMill();
        for (int i = 0; i < 12; i++) {
            Check.added(mill, i, i == 2 ? "a a a" : i == 9 ? "a a a a" : i > 3 && i < 8 ? "b" : "a");
        }
        mill.flush();
        mill.look(true);
        Check.termQuery(mill, 0, "a");
        Check.due("50: nothing was found yet", mill.skipped(), 0);
        Check.due("47: the best", mill.find(0, 0, 1), 1);
        Check.due("48: it is in the last block", mill.hitAt(0), 9);
        Check.due("50: the block without a is skipped", mill.skipped(), 1);
        Check.due("47: two", mill.find(0, 0, 2), 2);
        Check.due("50: again", mill.skipped(), 1);
        Check.due("47: eight", mill.find(0, 0, 9), 8);
        Check.due("50: not as many are held as wanted", mill.skipped(), 0);
        mill.delete(9);
        mill.look(true);
        mill.find(1, 0, 1);
        Check.due("50: the bound is of documents that are not live, too", mill.skipped(), 1);
        Check.due("48: the one that is live", mill.hitAt(0), 2);
        mill.delete(2);
        for (int i = 20; i < 25; i++) {
            Check.added(mill, i, "a");
        }
        mill.flush();
        mill.look(true);
        mill.find(2, 0, 1);
        Check.due("48: of the same rank the first", mill.hitAt(0), 0);
        Check.due("50: blocks of the second segment, of the same bound", mill.skipped(), 3);
        Check.fails("47: wrong", Check.INDEX, () -> mill.find(9, 0, 1));
        Check.due("50: it stays", mill.skipped(), 3);
    }

    static void bounds() {
        SearchMill mill = new SearchMill();
        for (int i = 0; i < 8; i++) {
            Check.added(mill, i, i == 0 ? "a b" : i == 4 ? "a a a x b" : i == 5 ? "zoo" : "y");
        }
        mill.flush();
        mill.look(true);
        Check.typed(mill, "a b").phrase(0, 0);
        mill.query();
        mill.find(0, 0, 1);
        Check.due("50: the first token alone makes the bound", mill.skipped(), 0);
        Check.typed(mill, "b a").near(0, 1, false);
        mill.query();
        mill.find(0, 1, 1);
        Check.due("50: the same count of b", mill.skipped(), 1);
        Check.typed(mill, "a").term(0);
        Check.typed(mill, "z*").wild(0);
        mill.least(2, 1);
        mill.query();
        mill.find(0, 2, 1);
        Check.due("48: a three times", mill.hitAt(0), 4);
        Check.typed(mill, "y").prefix(0);
        mill.query();
        mill.find(0, 3, 1);
        Check.due("50: of others 32, however often", mill.skipped(), 1);
        Check.typed(mill, "b").fuzzy(0, 0);
        mill.query();
        mill.find(0, 4, 1);
        Check.due("50: not above the least rank", mill.skipped(), 1);
        Check.typed(mill, "b").fuzzy(0, 0);
        Check.typed(mill, "zoo").fuzzy(0, 0);
        mill.least(2, 1);
        mill.query();
        mill.find(0, 5, 1);
        Check.due("50: of different documents together", mill.skipped(), 0);
    }

    static void asideBounds() {
        SearchMill mill = new SearchMill();
        for (int i = 0; i < 8; i++) {
            Check.added(mill, i, i == 5 ? "a b" : "a");
        }
        mill.flush();
        mill.look(true);
        Check.typed(mill, "a").term(0);
        Check.typed(mill, "b").term(0);
        mill.but();
        mill.query();
        mill.find(0, 0, 1);
        Check.due("50: the second part is not in the bound", mill.skipped(), 1);
        Check.typed(mill, "a").term(0);
        Check.typed(mill, "a").term(0);
        Check.typed(mill, "b").term(0);
        mill.but();
        mill.but();
        mill.query();
        Check.due("47: a without (a without b)", mill.find(0, 1, 1), 1);
        Check.due("48: a b", mill.hitAt(0), 5);
        Check.due("50: nothing was held ahead of it", mill.skipped(), 0);
        Check.typed(mill, "a").term(0);
        Check.typed(mill, "b").term(0);
        mill.least(2, 1);
        mill.query();
        mill.find(0, 2, 1);
        Check.due("50: both parts of ANY are in it", mill.skipped(), 0);
    }

    static void cache() {
        SearchMill mill = new SearchMill();
        Check.due("51: nothing was found yet", mill.cached(), 0);
        for (int i = 0; i < 2; i++) {
            Check.added(mill, i, "a");
            mill.flush();
        }
        mill.look(true);
        Check.termQuery(mill, 0, "a");
        Check.termQuery(mill, 0, "a");
        mill.find(0, 0, 1);
        Check.due("51: none", mill.cached(), 0);
        mill.find(0, 0, 2);
        Check.due("51: both", mill.cached(), 2);
        mill.find(0, 1, 1);
        Check.due("51: an entry is for a query", mill.cached(), 0);
        mill.delete(0);
        Check.added(mill, 2, "a");
        mill.flush();
        mill.look(true);
        mill.find(1, 0, 3);
        Check.due("51: of another snapshot, too", mill.cached(), 2);
        Check.due("48: live ones alone", mill.hitAt(0), 1);
        mill.matches(1, 1);
        mill.find(1, 1, 3);
        Check.due("51: the cache is for finding alone", mill.cached(), 2);
        Check.fails("47: wrong", Check.ARGUMENT, () -> mill.find(1, 1, 0));
        Check.due("51: it stays", mill.cached(), 2);
        mill.shut(0);
        mill.find(1, 1, 3);
        Check.due("51: shutting leaves it", mill.cached(), 3);
        mill.crashAt(0);
        mill.prepare();
        Check.due("51: gone", mill.cached(), 0);
        Check.due("50: gone", mill.skipped(), 0);
        SearchMill other = new SearchMill();
        Check.added(other, 0, "a");
        other.prepare();
        other.finish();
        Check.termQuery(other, 0, "a");
        other.look(true);
        other.find(0, 0, 1);
        other.crashAt(0);
        other.prepare();
        other.open();
        other.look(true);
        other.find(1, 0, 1);
        Check.due("51: the cache is gone with the crash", other.cached(), 0);
        other.find(1, 0, 1);
        Check.due("51: and filled anew", other.cached(), 1);
    }

    static void cacheOrder() {
        SearchMill mill = new SearchMill();
        Check.added(mill, 0, "a");
        mill.flush();
        mill.look(true);
        for (int i = 0; i < 10; i++) {
            Check.termQuery(mill, 0, "a");
        }
        for (int i = 0; i < 8; i++) {
            mill.find(0, i, 1);
        }
        mill.find(0, 0, 1);
        Check.due("51: the first of eight", mill.cached(), 1);
        mill.find(0, 8, 1);
        Check.due("51: a ninth", mill.cached(), 0);
        mill.find(0, 0, 1);
        Check.due("51: the one that was taken stays", mill.cached(), 1);
        mill.find(0, 1, 1);
        Check.due("51: the one put longest ago went", mill.cached(), 0);
        mill.find(0, 2, 1);
        Check.due("51: and then the next one", mill.cached(), 0);
        mill.find(0, 8, 1);
        Check.due("51: the ninth is still there", mill.cached(), 1);
        SearchMill many = new SearchMill();
        for (int i = 0; i < 9; i++) {
            many.add(i);
            many.flush();
        }
        many.look(true);
        Check.termQuery(many, 0, "a");
        many.find(0, 0, 1);
        many.find(0, 0, 1);
        Check.due("51: nine segments one behind the other", many.cached(), 0);
    }
}
